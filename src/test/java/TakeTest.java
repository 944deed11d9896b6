/** Promise 4: blocks are taken at a goal, or in a run near to it. */
public final class TakeTest {
    public static void main(String[] args) {
        Due due = new Due();
        atGoal(due);
        shortestRun(due);
        orderOfGroups(due);
        longestRun(due);
        limitComesFirst(due);
        wrongInputs(due);
        noneLeft(due);
        due.end();
    }

    private static void atGoal(Due due) {
        GroupBitmaps x = new GroupBitmaps();
        due.is("take(100, 10)", 100, () -> x.take(100, 10, false));
        for (int block = 99; block < 111; block++) {
            int asked = block;
            due.is("isTaken(0, " + block + ")", block >= 100 && block < 110, () -> x.isTaken(0, asked));
        }
        due.is("free blocks of 0", 234, () -> x.group(0, 2));
        due.is("take(90, 10) just before", 90, () -> x.take(90, 10, false));
        due.is("take(80, 11) reaches a taken block", 12, () -> x.take(80, 11, false));
        due.is("take(246, 10) to the group's end", 246, () -> x.take(246, 10, false));
        due.is("take(510, 3) over the group's end", 268, () -> x.take(510, 3, false));
        due.is("take(512, 1) at a fixed block", 522, () -> x.take(512, 1, false));
        due.is("take(1023, 1) at the last block", 1023, () -> x.take(1023, 1, false));
    }

    private static void shortestRun(Due due) {
        GroupBitmaps x = new GroupBitmaps();
        x.take(12, 244, false);
        x.give(20, 9);
        x.give(40, 5);
        x.give(60, 4);
        x.give(80, 5);
        x.give(250, 6);
        due.is("take(0, 5): the shortest, the first", 40, () -> x.take(0, 5, false));
        due.is("take(0, 5) again", 80, () -> x.take(0, 5, false));
        due.is("take(0, 5): the run at the end", 250, () -> x.take(0, 5, false));
        due.is("take(0, 1): the rest of that run", 255, () -> x.take(0, 1, false));
        due.is("take(0, 5): a longer one", 20, () -> x.take(0, 5, false));
        due.is("take(0, 4): of two of four", 25, () -> x.take(0, 4, false));
        due.is("take(0, 5): the next group", 268, () -> x.take(0, 5, false));
    }

    private static void orderOfGroups(Due due) {
        GroupBitmaps x = new GroupBitmaps();
        x.take(522, 246, false);
        x.take(780, 244, false);
        due.is("behind the last group comes group 0", 12, () -> x.take(522, 3, false));
        x.give(780, 10);
        due.is("group 3 before a better fit in 0", 780, () -> x.take(522, 3, false));
        x.lay(3, 100);
        x.take(522, 90, false);
        due.is("three groups: behind 2 comes 0", 12, () -> x.take(600, 2, false));
        x.take(14, 242, false);
        due.is("three groups: behind 0 comes 1", 268, () -> x.take(600, 2, false));
    }

    private static void longestRun(Due due) {
        GroupBitmaps x = new GroupBitmaps();
        x.lay(3, 256);
        x.take(12, 244, false);
        x.take(268, 244, false);
        x.take(522, 246, false);
        x.give(30, 6);
        x.give(50, 6);
        x.give(300, 6);
        x.give(320, 5);
        x.give(600, 5);
        due.is("take(600, 200): group 0 before 1", 30, () -> x.take(600, 200, false));
        due.is("taken()", 6, x::taken);
        due.is("take(268, 20): the goal's group first", 300, () -> x.take(268, 20, false));
        due.is("take(268, 20): the longest of all", 50, () -> x.take(268, 20, false));
        due.is("take(600, 6): the goal's group first", 600, () -> x.take(601, 6, false));
        due.is("taken() of five", 5, x::taken);
    }

    private static void limitComesFirst(Due due) {
        GroupBitmaps x = new GroupBitmaps();
        x.lay(1, 20);
        x.reserve(6);
        due.is("take(18, 5): two may be taken, at the goal", 18, () -> x.take(18, 5, false));
        due.is("taken() of two", 2, x::taken);
        due.fails("six left are reserved", () -> x.take(12, 1, false));
        x.give(18, 1);
        due.is("take(12, 9): one may be taken", 12, () -> x.take(12, 9, false));
        due.is("take(13, 9, true): all six left, but no run of them", 13, () -> x.take(13, 9, true));
        due.is("taken() of the longest", 6, x::taken);
    }

    private static void wrongInputs(Due due) {
        GroupBitmaps x = new GroupBitmaps();
        x.lay(2, 100);
        x.settle();
        int[] goals = {-1, 356, 512, 1023, 1024, Integer.MIN_VALUE, Integer.MAX_VALUE};
        for (int goal : goals) {
            due.refuses("take(" + goal + ", 1)", () -> x.take(goal, 1, true));
        }
        int[] wrong = {0, 257, -1, Integer.MIN_VALUE, Integer.MAX_VALUE};
        for (int n : wrong) {
            due.refuses("take(20, " + n + ")", () -> x.take(20, n, true));
        }
        due.is("nothing is taken", 332, () -> x.reserve(0));
        due.is("nothing is told", 0, x::settle);
        due.is("take(355, 1)", 355, () -> x.take(355, 1, false));
    }

    private static void noneLeft(Due due) {
        GroupBitmaps x = new GroupBitmaps();
        x.lay(1, 16);
        x.take(12, 4, false);
        due.fails("take() of a full volume", () -> x.take(12, 1, false));
        due.fails("take() of a full volume, all", () -> x.take(12, 1, true));
        due.refuses("a wrong n in a full volume", () -> x.take(12, 0, true));
        due.refuses("a wrong goal in a full volume", () -> x.take(16, 1, true));
    }
}
