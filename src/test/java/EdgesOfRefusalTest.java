import java.util.ArrayList;
import java.util.List;

/**
 * Promise 18: a call that is refused changes nothing. Each refused call is made on one of two worlds that
 * are built alike; whatever can be found out of the two by later calls is the same.
 */
public final class EdgesOfRefusalTest {
    private static final int BAD = StoryWorld.BAD;
    private static final int NO_ROOM = StoryWorld.NO_ROOM;
    private static final int NO = 0;

    private interface Call {
        int on(StoryWorld world);
    }

    private interface Search {
        void in(StoryWorld world, List<Integer> found);
    }

    private interface Build {
        StoryWorld world();
    }

    private final Due due;
    private final Build build;
    private final String name;

    private EdgesOfRefusalTest(Due due, String name, Build build) {
        this.due = due;
        this.name = name;
        this.build = build;
    }

    public static void main(String[] args) {
        Due due = new Due();
        EdgesOfRefusalTest fresh = new EdgesOfRefusalTest(due, "a new world", StoryWorld::new);
        EdgesOfRefusalTest some = new EdgesOfRefusalTest(due, "a world", EdgesOfRefusalTest::someWorld);
        EdgesOfRefusalTest full = new EdgesOfRefusalTest(due, "a full world", EdgesOfRefusalTest::fullWorld);
        fresh.refusedAlways();
        some.refusedAlways();
        full.refusedAlways();
        fresh.refusedWhereNoneIs();
        some.refusedWherePartsAre();
        full.refusedWhereFull();
        due.end();
    }

    /** Some of all: 14 words, 6 rules, exits, dark rooms, things in one another, 5 typed, 2 said. */
    private static StoryWorld someWorld() {
        StoryWorld world = new StoryWorld();
        addWords(world, 14);
        addRules(world, 6);
        addRoomsAndThings(world);
        world.command(Story.OPEN, 5, 0);
        world.command(Story.CLOSE, 5, 0);
        Story.type(world, "b the");
        return world;
    }

    /** 24 words, 16 rules and 30 typed. */
    private static StoryWorld fullWorld() {
        StoryWorld world = new StoryWorld();
        addWords(world, 24);
        addRules(world, 16);
        addRoomsAndThings(world);
        for (int i = 0; i < 5; i++) {
            world.command(Story.OPEN, 5, 0);
        }
        Story.type(world, "s s s s s s s s s s s s b    k");
        return world;
    }

    /** Words a, b, c .. with the meanings of the document in order. */
    private static void addWords(StoryWorld world, int count) {
        int[] meanings = {0, 1, 2, 3, 4, 5, 10, 11, 12, 13, 20, 21, 22, 23, 24, 25, 26, 27, 30, 30, 0, 1, 10, 27};
        for (int i = 0; i < count; i++) {
            world.word(i + 1, meanings[i]);
        }
    }

    private static void addRules(StoryWorld world, int count) {
        for (int i = 0; i < count; i++) {
            int effect = i % 2 == 0 ? Story.say(10 + i) : Story.grow(i % 4, 1 + i % 3);
            world.rule((i + 4) % 6, i % 3 - 1, i % 5 == 0 ? 0 : Story.ifCounter(1, 1), effect);
        }
    }

    private static void addRoomsAndThings(StoryWorld world) {
        for (int room = 0; room <= 5; room++) {
            world.link(room, room % 4, (room + 1) % 6);
            world.dark(room, room % 2 == 1);
        }
        world.thing(0, Story.OPEN_BOX, 0);
        world.thing(1, Story.LAMP, Story.in(0));
        world.thing(2, Story.BOX, Story.in(0));
        world.thing(3, Story.FIXED, Story.in(2));
        world.thing(4, 0, Story.HELD);
        world.thing(5, Story.BOX + Story.LAMP, 0);
    }

    /** Makes the call on one world and not on the other, and looks at both in every way. */
    private void refused(String call, int answer, Call made) {
        Search[] searches = {EdgesOfRefusalTest::answers, EdgesOfRefusalTest::typed, EdgesOfRefusalTest::words,
            EdgesOfRefusalTest::rules, EdgesOfRefusalTest::rooms};
        for (int i = 0; i < searches.length; i++) {
            StoryWorld one = build.world();
            StoryWorld other = build.world();
            due.is(call + " on " + name, answer, made.on(one));
            List<Integer> ofOne = new ArrayList<>();
            List<Integer> ofOther = new ArrayList<>();
            searches[i].in(one, ofOne);
            searches[i].in(other, ofOther);
            due.yes("what search " + i + " finds after " + call + " on " + name + ", " + ofOne + ", is what"
                    + " was there before, " + ofOther, ofOne.equals(ofOther));
        }
    }

    private static void answers(StoryWorld world, List<Integer> found) {
        for (int t = 0; t <= 7; t++) {
            found.add(world.place(t));
            found.add(world.traits(t));
            found.add(world.visible(t) ? 1 : 0);
        }
        for (int k = 0; k <= 3; k++) {
            found.add(world.counter(k));
        }
        found.add(world.player());
        found.add(world.said());
        for (int k = 0; k <= 39; k++) {
            found.add(world.saying(k));
        }
    }

    /** How many can still be typed, and what was. */
    private static void typed(StoryWorld world, List<Integer> found) {
        int more = 0;
        for (int i = 0; i < 31; i++) {
            more += world.type(' ') ? 1 : 0;
        }
        found.add(more);
        found.add(world.enter());
        answers(world, found);
    }

    /** What each word of one letter means: alone, behind TAKE, and before thing 0; then how many words there are. */
    private static void words(StoryWorld world, List<Integer> found) {
        world.enter();
        for (char c = 'a'; c <= 'z'; c++) {
            found.add(Story.enter(world, "" + c));
            found.add(Story.enter(world, "b " + c));
            found.add(Story.enter(world, c + " k"));
        }
        found.add(world.word(531440, 30));
        found.add(Story.enter(world, "zzzz"));
    }

    private static void rules(StoryWorld world, List<Integer> found) {
        for (int verb = 0; verb <= 5; verb++) {
            for (int x = 0; x <= (verb == 0 ? 3 : 7); x++) {
                found.add(world.command(verb, x, 0));
                found.add(world.said());
                found.add(world.counter(1));
                found.add(world.counter(3));
            }
        }
        found.add(world.rule(5, 7, 0, 0));
        for (int i = 0; i < 18; i++) {
            found.add(world.unrule());
        }
    }

    /** Where each exit leads and which rooms are dark, asked without rules and lamps. */
    private static void rooms(StoryWorld world, List<Integer> found) {
        for (int i = 0; i < 16; i++) {
            world.unrule();
        }
        for (int t = 0; t <= 7; t++) {
            world.thing(t, 0, Story.NOWHERE);
        }
        for (int room = 0; room <= 5; room++) {
            for (int direction = 0; direction <= 3; direction++) {
                Story.bring(world, room);
                found.add(world.command(Story.GO, direction, 0));
                found.add(world.player());
            }
            Story.bring(world, room);
            world.thing(0, 0, room);
            found.add(world.visible(0) ? 1 : 0);
        }
    }

    private static int asInt(boolean answer) {
        return answer ? 1 : 0;
    }

    private void refusedAlways() {
        due.sentence("a call that is refused changes nothing: dark, link");
        refused("dark(-1, true)", NO, w -> asInt(w.dark(-1, true)));
        refused("dark(6, true)", NO, w -> asInt(w.dark(6, true)));
        refused("dark(6, false)", NO, w -> asInt(w.dark(6, false)));
        refused("link(-1, 0, 3)", NO, w -> asInt(w.link(-1, 0, 3)));
        refused("link(6, 0, 3)", NO, w -> asInt(w.link(6, 0, 3)));
        refused("link(0, -1, 3)", NO, w -> asInt(w.link(0, -1, 3)));
        refused("link(1, -1, 3)", NO, w -> asInt(w.link(1, -1, 3)));
        refused("link(0, 4, 3)", NO, w -> asInt(w.link(0, 4, 3)));
        refused("link(0, 0, -2)", NO, w -> asInt(w.link(0, 0, -2)));
        refused("link(0, 0, 6)", NO, w -> asInt(w.link(0, 0, 6)));
        due.sentence("a call that is refused changes nothing: thing");
        refused("thing(-1, 3, 3)", NO, w -> asInt(w.thing(-1, 3, 3)));
        refused("thing(8, 3, 3)", NO, w -> asInt(w.thing(8, 3, 3)));
        refused("thing(0, -1, 3)", NO, w -> asInt(w.thing(0, -1, 3)));
        refused("thing(0, 16, 3)", NO, w -> asInt(w.thing(0, 16, 3)));
        refused("thing(0, 9, -1)", NO, w -> asInt(w.thing(0, 9, -1)));
        refused("thing(0, 9, 16)", NO, w -> asInt(w.thing(0, 9, 16)));
        refused("thing(0, 9, 8)", NO, w -> asInt(w.thing(0, 9, 8)));
        refused("thing(7, 9, 15)", NO, w -> asInt(w.thing(7, 9, 15)));
        due.sentence("a call that is refused changes nothing: word");
        refused("word(0, 30)", BAD, w -> w.word(0, 30));
        refused("word(27, 30)", BAD, w -> w.word(27, 30));
        refused("word(730, 30)", BAD, w -> w.word(730, 30));
        refused("word(531441, 30)", BAD, w -> w.word(531441, 30));
        refused("word(1, 31)", BAD, w -> w.word(1, 31));
        refused("word(25, -1)", BAD, w -> w.word(25, -1));
        due.sentence("a call that is refused changes nothing: type, command");
        refused("type(31)", NO, w -> asInt(w.type(31)));
        refused("type(96)", NO, w -> asInt(w.type(96)));
        refused("type(123)", NO, w -> asInt(w.type(123)));
        refused("command(-1, 0, 0)", BAD, w -> w.command(-1, 0, 0));
        refused("command(6, 0, 0)", BAD, w -> w.command(6, 0, 0));
        refused("command(0, -1, 0)", BAD, w -> w.command(0, -1, 0));
        refused("command(0, 4, 0)", BAD, w -> w.command(0, 4, 0));
        for (int verb = 1; verb <= 5; verb++) {
            int v = verb;
            refused("command(" + v + ", -1, 0)", BAD, w -> w.command(v, -1, 0));
            refused("command(" + v + ", 8, 0)", BAD, w -> w.command(v, 8, 0));
        }
        refused("command(3, 4, -1)", BAD, w -> w.command(3, 4, -1));
        refused("command(3, 4, 8)", BAD, w -> w.command(3, 4, 8));
        due.sentence("a call that is refused changes nothing: place, traits, counter, visible, saying");
        refused("place(8)", BAD, w -> w.place(8));
        refused("traits(-1)", BAD, w -> w.traits(-1));
        refused("counter(4)", 0, w -> w.counter(4));
        refused("visible(8)", NO, w -> asInt(w.visible(8)));
        refused("saying(-1)", BAD, w -> w.saying(-1));
        refused("saying(40)", BAD, w -> w.saying(40));
    }

    private void refusedWhereNoneIs() {
        due.sentence("a call that is refused changes nothing: unrule and saying where there is none");
        refused("unrule()", BAD, StoryWorld::unrule);
        refused("saying(0)", BAD, w -> w.saying(0));
        badRules();
    }

    private void refusedWherePartsAre() {
        due.sentence("a call that is refused changes nothing: thing that would get inside itself");
        refused("thing(0, 9, in 2)", NO, w -> asInt(w.thing(0, 9, Story.in(2))));
        refused("thing(0, 9, in 3)", NO, w -> asInt(w.thing(0, 9, Story.in(3))));
        refused("thing(2, 9, in 3)", NO, w -> asInt(w.thing(2, 9, Story.in(3))));
        badRules();
    }

    private void badRules() {
        due.sentence("a call that is refused changes nothing: rule, BAD");
        refused("rule(-1, 0, 0, 0)", BAD, w -> w.rule(-1, 0, 0, 0));
        refused("rule(6, 0, 0, 0)", BAD, w -> w.rule(6, 0, 0, 0));
        refused("rule(0, 4, 0, 0)", BAD, w -> w.rule(0, 4, 0, 0));
        refused("rule(1, -2, 0, 0)", BAD, w -> w.rule(1, -2, 0, 0));
        refused("rule(1, 8, 0, 0)", BAD, w -> w.rule(1, 8, 0, 0));
        refused("rule(1, 0, -1, 0)", BAD, w -> w.rule(1, 0, -1, 0));
        refused("rule(1, 0, 1024, 0)", BAD, w -> w.rule(1, 0, 1024, 0));
        refused("rule(1, 0, 1023, 0)", BAD, w -> w.rule(1, 0, 1023, 0));
        refused("rule(1, 0, 0, -1)", BAD, w -> w.rule(1, 0, 0, -1));
        refused("rule(1, 0, 0, 2048)", BAD, w -> w.rule(1, 0, 0, 2048));
        refused("rule(1, 0, 0, 2047)", BAD, w -> w.rule(1, 0, 0, 2047));
    }

    private void refusedWhereFull() {
        due.sentence("a call that is refused changes nothing: word and rule, NO_ROOM; type, false");
        refused("word(25, 10)", NO_ROOM, w -> w.word(25, 10));
        refused("word(531440, 10)", NO_ROOM, w -> w.word(531440, 10));
        refused("rule(1, -1, 0, 4)", NO_ROOM, w -> w.rule(1, -1, 0, 4));
        refused("rule(6, 0, 0, 0)", NO_ROOM, w -> w.rule(6, 0, 0, 0));
        refused("type('z')", NO, w -> asInt(w.type('z')));
        refused("type(' ')", NO, w -> asInt(w.type(' ')));
    }
}
