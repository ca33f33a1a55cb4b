/** The example of README.md: its calls, with the answers that it tells. */
public final class ReadmeTest {
    public static void main(String[] args) {
        Checks checks = new Checks();
        LoggiaPlanner planner = new LoggiaPlanner();
        checks.due("README room", planner.addRoom(50, 50, 100, 80), 0);
        int lender = planner.addLender(150, 3, 20);
        int lent = planner.addWork(40, 40, 60, 60, 100, lender);
        int own = planner.addWork(60, 40, 60, 60, 80, -1);
        planner.separate(lent, own, 'w');
        int show = planner.addExhibition(5, 15, 10);
        checks.due("README draft", planner.stateOf(show), 'd');
        planner.include(show, lent);
        planner.include(show, own);
        checks.due("README request", planner.request(show), 'p');
        checks.due("README wall", planner.wallOf(show, 0), 0);
        checks.due("README wall of the other", planner.wallOf(show, 1), 1);
        checks.due("README away", planner.awayFor(lent, 2), show);
        checks.due("README insured", planner.insured(), 1700L);
        checks.due("README down", planner.setClimate(0, 70, 50), 1);
        checks.due("README waits", planner.stateOf(show), 'w');
        checks.due("README second room", planner.addRoom(50, 50, 80, 100), 1);
        checks.due("README planned anew", planner.stateOf(show), 'p');
        checks.due("README moved", planner.wallOf(show, 0), 2);
        checks.end();
    }
}
