/** Promise 4, and "to take n blocks at a goal": the runs, where the blocks at the goal are not free. */
public final class TakeRunTest {
    public static void main(String[] args) {
        Due due = new Due();
        shortestRun(due);
        runsAtBothEnds(due);
        runAtAShortEnd(due);
        runsEndWithTheirGroup(due);
        oneGroupHasRoom(due);
        firstOfTwoGroups(due);
        goalsGroupFirst(due);
        longestRun(due);
        longestOfSeveral(due);
        longestRunInOneGroup(due);
        due.end();
    }

    /** "The shortest such run, of several the first one: its first n." */
    private static void shortestRun(Due due) {
        GroupBitmaps x = new GroupBitmaps();
        Make.fillBlocks(x, 0);
        x.give(20, 9);
        x.give(40, 5);
        x.give(60, 4);
        x.give(80, 5);
        x.give(250, 6);
        due.is("of 9, 5, 4, 5 and 6: five", 40, () -> x.take(0, 5, false));
        due.is("of 9, 4, 5 and 6: five", 80, () -> x.take(0, 5, false));
        due.is("of 9, 4 and 6: five", 250, () -> x.take(0, 5, false));
        due.is("of 9, 4 and 1: one", 255, () -> x.take(0, 1, false));
        due.is("of 9 and 4: five", 20, () -> x.take(0, 5, false));
        due.is("of 4 and 4: three", 25, () -> x.take(0, 3, false));
        due.is("of 1 and 4: two", 60, () -> x.take(0, 2, false));
        due.is("of 1 and 2: one", 28, () -> x.take(0, 1, false));
        due.is("of 2: three, in the next group", 268, () -> x.take(0, 3, false));
        due.is("group(0, 5)", 2, () -> x.group(0, 5));
    }

    /** "(What is before and behind is taken, or the group's end)." */
    private static void runsAtBothEnds(Due due) {
        GroupBitmaps x = new GroupBitmaps();
        x.take(16, 236, false);
        due.is("group(0, 5): four at both ends", 4, () -> x.group(0, 5));
        due.is("the first of two of four", 12, () -> x.take(0, 4, false));
        due.is("that at the end", 252, () -> x.take(0, 4, false));
        due.is("group(0, 5) of a full group", 0, () -> x.group(0, 5));
        due.is("one of the next group", 268, () -> x.take(0, 1, false));
    }

    private static void runAtAShortEnd(Due due) {
        GroupBitmaps x = Make.laid(2, 21);
        x.take(268, 6, false);
        due.is("group(1, 5): three at the end", 3, () -> x.group(1, 5));
        due.is("four are in group 0", 12, () -> x.take(276, 4, false));
        due.is("three at the end", 274, () -> x.take(276, 3, false));
        due.is("group(1, 5) of a full group", 0, () -> x.group(1, 5));
    }

    /** A run is of one group: free blocks at an end and in the next group are two. */
    private static void runsEndWithTheirGroup(Due due) {
        GroupBitmaps x = Make.laid(2, 256);
        x.take(12, 240, false);
        x.take(272, 240, false);
        due.is("four at the end of 0, four of 1: five", 252, () -> x.take(252, 5, false));
        due.is("taken()", 4, x::taken);
        due.is("the four of 1", 268, () -> x.take(252, 5, false));
        due.is("taken() again", 4, x::taken);
    }

    /** "From the goal's on, one behind the other (behind the last one comes group 0)." */
    private static void oneGroupHasRoom(Due due) {
        for (int groups = 1; groups <= 4; groups++) {
            for (int from = 0; from < groups; from++) {
                for (int only = 0; only < groups; only++) {
                    GroupBitmaps x = withRoomIn(groups, 1 << only);
                    int goal = 256 * from;
                    due.is(groups + " groups, goal in " + from + ", room in " + only, roomOf(only),
                        () -> x.take(goal, 2, false));
                    due.is("taken()", 2, x::taken);
                }
            }
        }
    }

    private static void firstOfTwoGroups(Due due) {
        for (int groups = 2; groups <= 4; groups++) {
            for (int from = 0; from < groups; from++) {
                for (int set = 1; set < 1 << groups; set++) {
                    GroupBitmaps x = withRoomIn(groups, set);
                    int first = from;
                    while ((set >> first & 1) == 0) {
                        first = first + 1 == groups ? 0 : first + 1;
                    }
                    int goal = 256 * from;
                    due.is(groups + " groups, goal in " + from + ", room in set " + set, roomOf(first),
                        () -> x.take(goal, 2, false));
                }
            }
        }
    }

    /** A full volume, but for six blocks from the 30th on in the groups of a set. */
    private static GroupBitmaps withRoomIn(int groups, int set) {
        GroupBitmaps x = Make.laid(groups, 256);
        Seen.takeAll(x);
        for (int g = 0; g < groups; g++) {
            if ((set >> g & 1) == 1) {
                x.give(roomOf(g), 6);
            }
        }
        return x;
    }

    private static int roomOf(int group) {
        return 256 * group + 30;
    }

    /** "Of the first group", though one behind it has a run that fits better. */
    private static void goalsGroupFirst(Due due) {
        GroupBitmaps x = Make.laid(3, 256);
        Seen.takeAll(x);
        x.give(30, 3);
        x.give(300, 9);
        x.give(700, 3);
        due.is("goal in 1: of 9", 300, () -> x.take(256, 3, false));
        due.is("goal in 2: of 3", 700, () -> x.take(512, 3, false));
        due.is("goal in 2 again: 0 is behind it", 30, () -> x.take(512, 3, false));
        due.is("goal in 2 again: 1 is behind that", 303, () -> x.take(512, 3, false));
    }

    /** "If no group has one: the longest run of all ..: all of it." */
    private static void longestRun(Due due) {
        for (int from = 0; from < 4; from++) {
            GroupBitmaps x = new GroupBitmaps();
            Seen.takeAll(x);
            x.give(30, 3);
            x.give(300, 5);
            x.give(600, 6);
            x.give(800, 4);
            int goal = 256 * from + 20;
            due.is("goal in " + from + ": seven", 600, () -> x.take(goal, 7, false));
            due.is("taken() of six", 6, x::taken);
            due.is("goal in " + from + ": six", 300, () -> x.take(goal, 6, false));
            due.is("taken() of five", 5, x::taken);
            due.is("goal in " + from + ": 256", 800, () -> x.take(goal, 256, false));
            due.is("taken() of four", 4, x::taken);
            due.is("goal in " + from + ": 256 again", 30, () -> x.take(goal, 256, false));
            due.is("taken() of three", 3, x::taken);
            due.fails("goal in " + from + ": none", () -> x.take(goal, 256, false));
        }
    }

    /** "Of several the first one in this order of groups": from the goal's on. */
    private static void longestOfSeveral(Due due) {
        for (int groups = 1; groups <= 4; groups++) {
            for (int from = 0; from < groups; from++) {
                GroupBitmaps x = withRoomIn(groups, (1 << groups) - 1);
                int goal = 256 * from + 255;
                for (int step = 0; step < groups; step++) {
                    int want = roomOf((from + step) % groups);
                    String name = groups + " groups, goal in " + from + ", time " + step;
                    due.is(name, want, () -> x.take(goal, 256, false));
                    due.is(name + ": taken()", 6, x::taken);
                }
            }
        }
    }

    private static void longestRunInOneGroup(Due due) {
        GroupBitmaps x = Make.laid(2, 40);
        Seen.takeAll(x);
        x.give(20, 2);
        x.give(30, 4);
        x.give(40, 4);
        x.give(252, 4);
        x.give(270, 4);
        due.is("the first of three of four", 30, () -> x.take(20, 5, false));
        due.is("the second", 40, () -> x.take(20, 5, false));
        due.is("the third, at the end", 252, () -> x.take(20, 5, false));
        due.is("that of the next group", 270, () -> x.take(20, 5, false));
        due.is("the last one", 20, () -> x.take(20, 5, false));
        due.is("taken()", 2, x::taken);
    }
}
