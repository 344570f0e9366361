/** Promises 1 to 4: each sentence that names a boundary case of a new object, dark, link and thing. */
public final class EdgesOfSettingUpTest {
    private static final int MIN = Integer.MIN_VALUE;
    private static final int MAX = Integer.MAX_VALUE;

    public static void main(String[] args) {
        Due due = new Due();
        newRoomsAndExits(due);
        newThings(due);
        newPlayerAndCounters(due);
        newRulesAndWords(due);
        newTypedAndSaid(due);
        darkRooms(due);
        darkTwice(due);
        linkRooms(due);
        linkDirections(due);
        linkTo(due);
        linkToNone(due);
        thingNumbers(due);
        thingTraits(due);
        thingPlaces(due);
        thingInItself(due);
        thingInsideItself(due);
        thingNotInsideItself(due);
        thingKnowsNoFullPlace(due);
        due.end();
    }

    private static void newRoomsAndExits(Due due) {
        due.sentence("There are 6 ROOMS, 0 to 5, each DARK or not, at first not");
        for (int room = 0; room <= 5; room++) {
            StoryWorld world = new StoryWorld();
            Story.bring(world, room);
            world.thing(0, 0, room);
            due.yes("visible(0) in room " + room, world.visible(0));
        }
        due.sentence("no exits");
        for (int room = 0; room <= 5; room++) {
            StoryWorld world = new StoryWorld();
            Story.bring(world, room);
            for (int direction = 0; direction <= 3; direction++) {
                due.is("GO " + direction + " in room " + room, StoryWorld.NO_WAY,
                        world.command(Story.GO, direction, 0));
            }
        }
    }

    private static void newThings(Due due) {
        StoryWorld world = new StoryWorld();
        due.sentence("8 THINGS, 0 to 7, each with TRAITS, at first 0");
        for (int t = 0; t <= 7; t++) {
            due.is("traits(" + t + ")", 0, world.traits(t));
        }
        due.sentence("Each thing is in a PLACE: 7 nowhere; at first nowhere");
        for (int t = 0; t <= 7; t++) {
            due.is("place(" + t + ")", 7, world.place(t));
        }
    }

    private static void newPlayerAndCounters(Due due) {
        StoryWorld world = new StoryWorld();
        due.sentence("The PLAYER is in a room, 0 at first");
        due.is("player()", 0, world.player());
        due.sentence("There are 4 COUNTERS, 0 to 3, ints, at first 0");
        for (int k = 0; k <= 3; k++) {
            due.is("counter(" + k + ")", 0, world.counter(k));
            due.yes("counter " + k + " is at least 0", Story.holds(world, Story.ifCounter(k, 0)));
            due.no("counter " + k + " is at least 1", Story.holds(world, Story.ifCounter(k, 1)));
        }
    }

    private static void newRulesAndWords(Due due) {
        StoryWorld world = new StoryWorld();
        due.sentence("no rules");
        due.is("unrule()", StoryWorld.BAD, world.unrule());
        due.is("DROP 0", StoryWorld.NOT_HELD, world.command(Story.DROP, 0, 0));
        due.is("the first rule", 1, world.rule(0, 0, 0, 0));
        due.sentence("no words");
        due.is("a", StoryWorld.UNKNOWN, Story.enter(world, "a"));
        due.is("zzzz", StoryWorld.UNKNOWN, Story.enter(world, "zzzz"));
        due.is("the first word", 1, world.word(1, 0));
    }

    private static void newTypedAndSaid(Due due) {
        StoryWorld world = new StoryWorld();
        due.sentence("nothing typed or said");
        due.is("said()", 0, world.said());
        due.is("saying(0)", StoryWorld.BAD, world.saying(0));
        due.yes("thirty can be typed", Story.type(world, " ".repeat(30)));
        due.is("enter() of a new object", StoryWorld.NOTHING, new StoryWorld().enter());
    }

    private static void darkRooms(Due due) {
        due.sentence("dark: room outside 0..5: refused, answers false. Else true");
        int[] outside = {-1, -2, 6, 7, MIN, MAX};
        for (int room : outside) {
            due.no("dark(" + room + ", true)", new StoryWorld().dark(room, true));
            due.no("dark(" + room + ", false)", new StoryWorld().dark(room, false));
        }
        int[] edges = {0, 5};
        for (int room : edges) {
            StoryWorld world = new StoryWorld();
            Story.bring(world, room);
            world.thing(0, 0, room);
            due.yes("dark(" + room + ", true)", world.dark(room, true));
            due.no("visible(0) then", world.visible(0));
            due.yes("dark(" + room + ", false)", world.dark(room, false));
            due.yes("visible(0) then", world.visible(0));
        }
    }

    private static void darkTwice(Due due) {
        due.sentence("dark: Makes a room dark, or not dark (also one that is so already)");
        StoryWorld world = new StoryWorld();
        world.thing(0, 0, 0);
        due.yes("dark(0, false) where it is not dark", world.dark(0, false));
        due.yes("visible(0)", world.visible(0));
        due.yes("dark(0, true)", world.dark(0, true));
        due.yes("dark(0, true) where it is dark", world.dark(0, true));
        due.no("visible(0)", world.visible(0));
    }

    /** The answer of GO in a room after a link that leads from it to room 2. */
    private static void leadsOn(Due due, int room, int direction) {
        StoryWorld world = new StoryWorld();
        due.yes("link(" + room + ", " + direction + ", 2)", world.link(room, direction, 2));
        Story.bring(world, room);
        due.is("GO " + direction, StoryWorld.DONE, world.command(Story.GO, direction, 0));
        due.is("player()", 2, world.player());
    }

    private static void linkRooms(Due due) {
        due.sentence("link: room outside 0..5: refused, answers false. Else true");
        int[] outside = {-1, 6, 7, MIN, MAX};
        for (int room : outside) {
            due.no("link(" + room + ", 0, 0)", new StoryWorld().link(room, 0, 0));
            due.no("link(" + room + ", 3, -1)", new StoryWorld().link(room, 3, -1));
        }
        leadsOn(due, 0, 1);
        leadsOn(due, 5, 1);
    }

    private static void linkDirections(Due due) {
        due.sentence("link: direction outside 0..3: refused, answers false. Else true");
        int[] outside = {-1, 4, 5, MIN, MAX};
        for (int direction : outside) {
            for (int room = 0; room <= 5; room++) {
                due.no("link(" + room + ", " + direction + ", 0)",
                        new StoryWorld().link(room, direction, 0));
            }
        }
        leadsOn(due, 1, 0);
        leadsOn(due, 1, 3);
    }

    private static void linkTo(Due due) {
        due.sentence("link: to outside -1..5: refused, answers false. Else true");
        int[] outside = {-2, 6, 7, MIN, MAX};
        for (int to : outside) {
            StoryWorld world = new StoryWorld();
            due.no("link(0, 0, " + to + ")", world.link(0, 0, to));
            due.is("GO 0", StoryWorld.NO_WAY, world.command(Story.GO, 0, 0));
        }
        int[] edges = {0, 5};
        for (int to : edges) {
            StoryWorld world = new StoryWorld();
            due.yes("link(0, 0, " + to + ")", world.link(0, 0, to));
            due.is("GO 0", StoryWorld.DONE, world.command(Story.GO, 0, 0));
            due.is("player()", to, world.player());
        }
    }

    private static void linkToNone(Due due) {
        due.sentence("link: Sets an exit of a room; to = -1: none");
        StoryWorld world = new StoryWorld();
        due.yes("link(0, 0, -1) where there is none", world.link(0, 0, -1));
        due.is("GO 0", StoryWorld.NO_WAY, world.command(Story.GO, 0, 0));
        world.link(0, 0, 4);
        world.link(0, 1, 3);
        due.yes("link(0, 0, -1) where there is one", world.link(0, 0, -1));
        due.is("GO 0", StoryWorld.NO_WAY, world.command(Story.GO, 0, 0));
        due.is("player()", 0, world.player());
        due.is("GO 1, another exit", StoryWorld.DONE, world.command(Story.GO, 1, 0));
        due.is("player()", 3, world.player());
    }

    private static void thingNumbers(Due due) {
        due.sentence("thing: t outside 0..7: refused, answers false. Else true");
        int[] outside = {-1, 8, 9, MIN, MAX};
        for (int t : outside) {
            due.no("thing(" + t + ", 0, 0)", new StoryWorld().thing(t, 0, 0));
        }
        int[] edges = {0, 7};
        for (int t : edges) {
            StoryWorld world = new StoryWorld();
            due.yes("thing(" + t + ", 9, 4)", world.thing(t, 9, 4));
            due.is("traits", 9, world.traits(t));
            due.is("place", 4, world.place(t));
        }
    }

    private static void thingTraits(Due due) {
        due.sentence("thing: traits outside 0..15: refused, answers false. Else true");
        StoryWorld world = new StoryWorld();
        world.thing(3, 6, 2);
        int[] outside = {-1, 16, 17, MIN, MAX};
        for (int traits : outside) {
            due.no("thing(3, " + traits + ", 1)", world.thing(3, traits, 1));
            due.is("traits(3)", 6, world.traits(3));
            due.is("place(3)", 2, world.place(3));
        }
        int[] edges = {15, 0};
        for (int traits : edges) {
            due.yes("thing(3, " + traits + ", 1)", world.thing(3, traits, 1));
            due.is("traits(3)", traits, world.traits(3));
        }
    }

    private static void thingPlaces(Due due) {
        due.sentence("thing: place outside 0..15: refused, answers false. Else true");
        StoryWorld world = new StoryWorld();
        world.thing(3, 6, 2);
        int[] outside = {-1, 16, 17, MIN, MAX};
        for (int place : outside) {
            due.no("thing(3, 1, " + place + ")", world.thing(3, 1, place));
            due.is("traits(3)", 6, world.traits(3));
            due.is("place(3)", 2, world.place(3));
        }
        int[] edges = {0, 5, 6, 7, 8, 15};
        for (int place : edges) {
            due.yes("thing(3, 1, " + place + ")", world.thing(3, 1, place));
            due.is("place(3)", place, world.place(3));
        }
    }

    private static void thingInItself(Due due) {
        due.sentence("thing: it would get inside itself (in it): refused, answers false");
        for (int t = 0; t <= 7; t++) {
            StoryWorld world = new StoryWorld();
            world.thing(t, 6, 1);
            due.no("thing(" + t + ") into itself", world.thing(t, 15, Story.in(t)));
            due.is("traits", 6, world.traits(t));
            due.is("place", 1, world.place(t));
        }
    }

    private static void thingInsideItself(Due due) {
        due.sentence("thing: it would get inside itself (in a thing that is inside it): refused, answers false");
        StoryWorld world = new StoryWorld();
        world.thing(4, 2, Story.HELD);
        world.thing(1, 2, Story.in(4));
        due.no("into what is in it", world.thing(4, 0, Story.in(1)));
        world.thing(6, 0, Story.in(1));
        due.no("into what is in a thing in it", world.thing(4, 0, Story.in(6)));
        world.thing(0, 0, Story.in(6));
        world.thing(2, 0, Story.in(0));
        world.thing(7, 0, Story.in(2));
        world.thing(3, 0, Story.in(7));
        world.thing(5, 0, Story.in(3));
        due.no("into the innermost of eight", world.thing(4, 0, Story.in(5)));
        due.no("the second into the innermost", world.thing(1, 0, Story.in(5)));
        due.no("the last but one into the innermost", world.thing(3, 0, Story.in(5)));
        due.is("traits(4)", 2, world.traits(4));
        due.is("place(4)", Story.HELD, world.place(4));
        due.is("place(1)", Story.in(4), world.place(1));
        due.is("place(3)", Story.in(7), world.place(3));
    }

    private static void thingNotInsideItself(Due due) {
        due.sentence("thing: it would get inside itself: refused. Else true");
        StoryWorld world = new StoryWorld();
        world.thing(0, 0, 3);
        due.yes("into a thing that is nowhere", world.thing(1, 0, Story.in(2)));
        due.yes("into a thing in a room", world.thing(1, 0, Story.in(0)));
        due.yes("into the thing it is in", world.thing(1, 5, Story.in(0)));
        due.is("traits(1)", 5, world.traits(1));
        due.yes("the innermost into the outermost", world.thing(2, 0, Story.in(1)));
        due.yes("out of the middle one", world.thing(2, 0, Story.in(0)));
        due.yes("one beside it into it", world.thing(1, 0, Story.in(2)));
        due.yes("what was inside is out", world.thing(1, 0, 3));
        due.yes("and may take in what it was in", world.thing(0, 0, Story.in(1)));
        due.is("place(0)", Story.in(1), world.place(0));
        due.is("place(2)", Story.in(0), world.place(2));
    }

    private static void thingKnowsNoFullPlace(Due due) {
        due.sentence("thing: Sets a thing's traits and place (no other case is refused)");
        StoryWorld world = new StoryWorld();
        for (int t = 0; t <= 7; t++) {
            due.yes("held, thing " + t, world.thing(t, Story.FIXED, Story.HELD));
        }
        for (int t = 1; t <= 7; t++) {
            due.yes("in what is no box, thing " + t, world.thing(t, 0, Story.in(0)));
        }
        due.is("place(7)", Story.in(0), world.place(7));
    }
}
