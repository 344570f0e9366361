/** Promises 5, 8 and 9: each sentence that names a boundary case of word, type and enter. */
public final class EdgesOfWordsTest {
    private static final int MIN = Integer.MIN_VALUE;
    private static final int MAX = Integer.MAX_VALUE;

    public static void main(String[] args) {
        Due due = new Due();
        withoutAFirstLetter(due);
        letterBehindAMissingOne(due);
        lettersOutside(due);
        lettersOfEachPlace(due);
        anotherMeaning(due);
        meaningAgain(due);
        roomFor24(due);
        typeLetters(due);
        typeThirty(due);
        typeRefused(due);
        betweenBlanks(due);
        cutToFour(due);
        unknown(due);
        nothing(due);
        direction(due);
        goAndDirection(due);
        verbAndThing(due);
        putAndTwoThings(due);
        confused(due);
        nothingIsTypedThen(due);
        due.end();
    }

    private static void bad(Due due, String what, int letters) {
        StoryWorld world = new StoryWorld();
        due.is(what + ", word(" + letters + ", 10)", StoryWorld.BAD, world.word(letters, 10));
        due.is("no word has a meaning then", 1, world.word(1, 10));
    }

    private static void withoutAFirstLetter(Due due) {
        due.sentence("word: letters without a first letter: BAD");
        bad(due, "no letter", 0);
        bad(due, "a second one alone", 27);
        bad(due, "z second alone", 26 * 27);
        bad(due, "a third one alone", 729);
        bad(due, "a fourth one alone", 19683);
        bad(due, "a second and a third", 27 + 729);
        bad(due, "all but the first", 26 * (27 + 729 + 19683));
    }

    private static void letterBehindAMissingOne(Due due) {
        due.sentence("word: letters with a letter behind one that is not there: BAD");
        bad(due, "a-a", 1 + 729);
        bad(due, "z-z", 26 + 26 * 729);
        bad(due, "a--a", 1 + 19683);
        bad(due, "z--z", 26 + 26 * 19683);
        bad(due, "aa-a", 1 + 27 + 19683);
        bad(due, "zz-z", 26 + 26 * 27 + 26 * 19683);
        bad(due, "a-aa", 1 + 729 + 19683);
    }

    private static void lettersOutside(Due due) {
        due.sentence("word: letters outside 1..531440: BAD");
        int[] outside = {0, -1, -26, -531440, 531441, 531442, 531441 + 26, 2 * 531441 + 1, MIN, MIN + 1, MAX};
        for (int letters : outside) {
            bad(due, "outside", letters);
        }
        due.is("word(1, 0)", 1, new StoryWorld().word(1, 0));
        due.is("word(531440, 0)", 1, new StoryWorld().word(531440, 0));
    }

    private static void lettersOfEachPlace(Due due) {
        due.sentence("word: the first letter (a is 1, z is 26) + 27 * the second + 729 * the third"
                + " + 19683 * the fourth one, 0 for a letter that is not there");
        int[] letters = {1, 26, 1 + 27, 26 + 26 * 27, 1 + 27 + 729, 26 + 26 * 27 + 26 * 729,
            1 + 27 + 729 + 19683, 531440, 1 + 2 * 27 + 3 * 729 + 4 * 19683};
        String[] texts = {"a", "z", "aa", "zz", "aaa", "zzz", "aaaa", "zzzz", "abcd"};
        for (int i = 0; i < letters.length; i++) {
            StoryWorld world = new StoryWorld();
            due.is("word(" + letters[i] + ", 30)", 1, world.word(letters[i], 30));
            for (String text : texts) {
                due.is("enter() of " + text, text.equals(texts[i]) ? StoryWorld.NOTHING : StoryWorld.UNKNOWN,
                        Story.enter(world, text));
            }
        }
    }

    private static void anotherMeaning(Due due) {
        due.sentence("word: meaning 0 to 5, 10 to 13, 20 to 27, 30; another meaning: BAD");
        int[] outside = {-1, 6, 9, 14, 19, 28, 29, 31, 40, MIN, MIN + 10, MIN + 20, MAX};
        for (int meaning : outside) {
            StoryWorld world = new StoryWorld();
            due.is("word(1, " + meaning + ")", StoryWorld.BAD, world.word(1, meaning));
            due.is("a has no meaning", StoryWorld.UNKNOWN, Story.enter(world, "a"));
        }
        int[] edges = {0, 5, 10, 13, 20, 27, 30};
        for (int meaning : edges) {
            due.is("word(1, " + meaning + ")", 1, new StoryWorld().word(1, meaning));
        }
    }

    private static void meaningAgain(Due due) {
        due.sentence("word: Gives a word a meaning (another one than before, if it has one)");
        StoryWorld world = new StoryWorld();
        world.link(0, 0, 0);
        due.is("a is passed over", 1, Story.word(world, "a", 30));
        due.is("b is direction 0", 2, Story.word(world, "b", 10));
        due.is("a", StoryWorld.NOTHING, Story.enter(world, "a"));
        due.is("a is direction 0", 2, Story.word(world, "a", 10));
        due.is("a", StoryWorld.DONE, Story.enter(world, "a"));
        due.is("a is direction 0 again", 2, Story.word(world, "a", 10));
        due.is("a", StoryWorld.DONE, Story.enter(world, "a"));
        due.is("a gets a wrong meaning", StoryWorld.BAD, Story.word(world, "a", 14));
        due.is("a has its last one", StoryWorld.DONE, Story.enter(world, "a"));
        due.is("b is passed over", 2, Story.word(world, "b", 30));
        due.is("b", StoryWorld.NOTHING, Story.enter(world, "b"));
        due.is("a", StoryWorld.DONE, Story.enter(world, "a"));
    }

    private static void roomFor24(Due due) {
        due.sentence("word: Else answers how many words have one");
        StoryWorld world = new StoryWorld();
        for (int i = 1; i <= 24; i++) {
            due.is("word(" + i + ", 30)", i, world.word(i, 30));
        }
        due.sentence("word: 24 words have a meaning, and not this one: NO_ROOM");
        due.is("word 25", StoryWorld.NO_ROOM, world.word(25, 30));
        due.is("y has no meaning", StoryWorld.UNKNOWN, Story.enter(world, "y"));
        due.is("zzzz", StoryWorld.NO_ROOM, world.word(531440, 0));
        due.is("the first one's meaning changes", 24, world.word(1, 10));
        due.is("a", StoryWorld.NO_WAY, Story.enter(world, "a"));
        due.is("the last one's meaning changes", 24, world.word(24, 10));
        due.is("x", StoryWorld.NO_WAY, Story.enter(world, "x"));
        due.is("one in the middle keeps its meaning", StoryWorld.NOTHING, Story.enter(world, "m"));
        due.is("still no room", StoryWorld.NO_ROOM, world.word(26, 30));
        due.sentence("word: Tested in this order: BAD; NO_ROOM");
        due.is("wrong letters", StoryWorld.BAD, world.word(27, 30));
        due.is("letters too large", StoryWorld.BAD, world.word(531441, 30));
        due.is("wrong meaning of another word", StoryWorld.BAD, world.word(25, 31));
        due.is("wrong meaning of a word that has one", StoryWorld.BAD, world.word(1, 31));
    }

    private static void typeLetters(Due due) {
        due.sentence("type: Types a letter (97 to 122) or a blank (32); false for another c");
        int[] other = {31, 33, 96, 123, 0, -1, 65, 90, 48, 10, 9, 160, 97 + 256, 97 + 65536, 32 - 256, MIN, MAX};
        for (int c : other) {
            due.no("type(" + c + ")", new StoryWorld().type(c));
        }
        int[] good = {97, 122, 32};
        for (int c : good) {
            due.yes("type(" + c + ")", new StoryWorld().type(c));
        }
        StoryWorld world = new StoryWorld();
        Story.word(world, "az", 30);
        due.is("az", StoryWorld.NOTHING, Story.enter(world, "az"));
    }

    private static void typeThirty(Due due) {
        due.sentence("type: false if 30 have been typed");
        int[] edges = {'a', 'z', ' '};
        for (int c : edges) {
            StoryWorld world = new StoryWorld();
            for (int i = 1; i <= 30; i++) {
                due.yes("type(" + c + ") number " + i, world.type(c));
            }
            due.no("a letter number 31", world.type('b'));
            due.no("a blank number 31", world.type(' '));
            due.no("another c number 31", world.type(1));
            world.enter();
            due.yes("room after enter()", world.type('b'));
        }
    }

    private static void typeRefused(Due due) {
        due.sentence("type: false (refused) types nothing");
        StoryWorld world = new StoryWorld();
        Story.word(world, "ab", 30);
        Story.word(world, "a", 10);
        world.type('a');
        for (int i = 0; i < 40; i++) {
            due.no("type(64)", world.type(64));
        }
        due.yes("there is room", world.type('b'));
        due.is("ab", StoryWorld.NOTHING, world.enter());
        Story.type(world, " ".repeat(29) + "a");
        due.no("b number 31", world.type('b'));
        due.is("a", StoryWorld.NO_WAY, world.enter());
    }

    /** Words of each sort; direction 0 leads back to room 0, thing 1 is an open box there, thing 0 is held. */
    private static StoryWorld speaking() {
        StoryWorld world = new StoryWorld();
        String[] words = {"go", "take", "drop", "put", "open", "clos", "n", "nort", "s", "coin", "box", "the"};
        int[] meanings = {0, 1, 2, 3, 4, 5, 10, 10, 13, 20, 21, 30};
        for (int i = 0; i < words.length; i++) {
            Story.word(world, words[i], meanings[i]);
        }
        world.link(0, 0, 0);
        world.thing(0, 0, Story.HELD);
        world.thing(1, Story.OPEN_BOX, 0);
        return world;
    }

    private static void answers(Due due, int answer, String... texts) {
        for (String text : texts) {
            due.is("'" + text + "'", answer, Story.enter(speaking(), text));
        }
    }

    private static void betweenBlanks(Due due) {
        due.sentence("enter: its words are what stands between blanks");
        answers(due, StoryWorld.DONE, "n", " n", "n ", "  n  ", "go n", "go   n", "  go  n  ",
                " ".repeat(29) + "n", "n" + " ".repeat(29), "go" + " ".repeat(27) + "n");
        answers(due, StoryWorld.UNKNOWN, "gon", "g o n", "n n n nn", "t he n");
    }

    private static void cutToFour(Due due) {
        due.sentence("enter: words cut to four letters");
        answers(due, StoryWorld.DONE, "nort", "north", "northward", "nort" + "z".repeat(26), "close box",
                "go nortnort", "put coins box", "closebox box");
        answers(due, StoryWorld.UNKNOWN, "nor", "noth", "norh", "nnort", "no", "clo box", "clsoe box", "boxx",
                "boxes", "thee");
    }

    private static void unknown(Due due) {
        due.sentence("enter: The first of these: a word without a meaning is among them: UNKNOWN");
        answers(due, StoryWorld.UNKNOWN, "q", "q n", "n q", "go n q", "go q n", "q q", "the q", "q the",
                "go go q", "the the q", "take box q", "put coin q box", "n n n n n n n n n n n n n n q");
        StoryWorld world = speaking();
        world.rule(Story.GO, -1, Story.ALWAYS, Story.say(1));
        due.is("go n q", StoryWorld.UNKNOWN, Story.enter(world, "go n q"));
        due.is("no rule has applied", 0, world.said());
    }

    private static void nothing(Due due) {
        due.sentence("enter: without those that are passed over there is no word: NOTHING");
        answers(due, StoryWorld.NOTHING, "", " ", " ".repeat(30), "the", " the ", "the the",
                "the the the the the the the", "the    the");
        StoryWorld world = new StoryWorld();
        Story.word(world, "a", 30);
        due.is("fifteen passed over", StoryWorld.NOTHING, Story.enter(world, "a a a a a a a a a a a a a a a"));
        answers(due, StoryWorld.DONE, "the n", "n the", "the go the n the", "take the the the the the box");
    }

    private static void direction(Due due) {
        due.sentence("enter: they are a direction (GO it): the result of that command");
        StoryWorld world = new StoryWorld();
        for (int d = 0; d <= 3; d++) {
            Story.word(world, "nesw".substring(d, d + 1), 10 + d);
        }
        world.link(0, 0, 5);
        world.link(5, 3, 2);
        due.is("s", StoryWorld.NO_WAY, Story.enter(world, "s"));
        due.is("n", StoryWorld.DONE, Story.enter(world, "n"));
        due.is("player()", 5, world.player());
        due.is("w", StoryWorld.DONE, Story.enter(world, "w"));
        due.is("player()", 2, world.player());
        world.rule(Story.GO, 1, Story.ALWAYS, Story.STOPS);
        due.is("e, with a rule for GO 1", StoryWorld.STOPPED, Story.enter(world, "e"));
    }

    private static void goAndDirection(Due due) {
        due.sentence("enter: they are GO and a direction: the result of that command");
        StoryWorld world = speaking();
        world.link(0, 3, 4);
        due.is("go n", StoryWorld.DONE, Story.enter(world, "go n"));
        due.is("player()", 0, world.player());
        due.is("go s", StoryWorld.DONE, Story.enter(world, "go s"));
        due.is("player()", 4, world.player());
        due.is("go s", StoryWorld.NO_WAY, Story.enter(world, "go s"));
        world.rule(Story.GO, 3, Story.ALWAYS, Story.STOPS);
        due.is("go s, with a rule for GO 3", StoryWorld.STOPPED, Story.enter(world, "go s"));
        due.is("go n, without", StoryWorld.NO_WAY, Story.enter(world, "go n"));
    }

    private static void verbAndThing(Due due) {
        due.sentence("enter: they are TAKE, DROP, OPEN or CLOSE and a thing: the result of that command");
        StoryWorld world = speaking();
        Story.word(world, "last", 27);
        due.is("take coin", StoryWorld.HAVE, Story.enter(world, "take coin"));
        due.is("drop coin", StoryWorld.DONE, Story.enter(world, "drop coin"));
        due.is("place(0)", 0, world.place(0));
        due.is("drop coin", StoryWorld.NOT_HELD, Story.enter(world, "drop coin"));
        due.is("take coin", StoryWorld.DONE, Story.enter(world, "take coin"));
        due.is("place(0)", Story.HELD, world.place(0));
        due.is("open box", StoryWorld.SAME, Story.enter(world, "open box"));
        due.is("close box", StoryWorld.DONE, Story.enter(world, "close box"));
        due.is("traits(1)", Story.BOX, world.traits(1));
        due.is("close box", StoryWorld.SAME, Story.enter(world, "close box"));
        due.is("open box", StoryWorld.DONE, Story.enter(world, "open box"));
        due.is("open coin", StoryWorld.NO_BOX, Story.enter(world, "open coin"));
        due.is("take last", StoryWorld.UNSEEN, Story.enter(world, "take last"));
        world.thing(7, 0, 0);
        due.is("take last", StoryWorld.DONE, Story.enter(world, "take last"));
        due.is("place(7)", Story.HELD, world.place(7));
    }

    private static void putAndTwoThings(Due due) {
        due.sentence("enter: they are PUT and two things: the result of that command");
        StoryWorld world = speaking();
        due.is("put box coin", StoryWorld.NOT_HELD, Story.enter(world, "put box coin"));
        due.is("put coin coin", StoryWorld.NO_BOX, Story.enter(world, "put coin coin"));
        due.is("put coin box", StoryWorld.DONE, Story.enter(world, "put coin box"));
        due.is("place(0)", Story.in(1), world.place(0));
        world.rule(Story.PUT, 1, Story.ALWAYS, Story.STOPS);
        due.is("put box box, with a rule for PUT 1", StoryWorld.STOPPED, Story.enter(world, "put box box"));
        due.is("put coin box, without", StoryWorld.NOT_HELD, Story.enter(world, "put coin box"));
    }

    private static void confused(Due due) {
        due.sentence("enter: else CONFUSED");
        answers(due, StoryWorld.CONFUSED, "go", "take", "drop", "put", "open", "close", "coin", "n n", "n go",
                "coin take", "go coin", "take n", "drop s", "open n", "close n", "put coin", "put n", "put coin n",
                "put n coin", "put coin box coin", "go n n", "take coin box", "take take coin", "go go", "go go n",
                "go take coin", "coin box", "coin put box", "coin box put", "n coin", "take drop", "open open",
                "n n n n n n n n n n n n n n n", "the go", "take the", "put the coin the");
        StoryWorld world = speaking();
        for (int verb = 0; verb <= 5; verb++) {
            world.rule(verb, -1, Story.ALWAYS, Story.say(1));
        }
        due.is("put coin", StoryWorld.CONFUSED, Story.enter(world, "put coin"));
        due.is("take coin box", StoryWorld.CONFUSED, Story.enter(world, "take coin box"));
        due.is("no rule has applied", 0, world.said());
    }

    private static void nothingIsTypedThen(Due due) {
        due.sentence("enter: Nothing is typed then");
        String[] texts = {"q", "the", "go go", "n", "s", "take coin", "put coin box", " ".repeat(30), "z".repeat(30)};
        for (String text : texts) {
            StoryWorld world = speaking();
            Story.enter(world, text);
            due.is("enter() after '" + text + "'", StoryWorld.NOTHING, world.enter());
            due.yes("thirty after it", Story.type(world, " ".repeat(30)));
            due.no("and no more", world.type(' '));
        }
        StoryWorld world = speaking();
        Story.enter(world, "put coin box");
        due.is("take, behind a line with things", StoryWorld.CONFUSED, Story.enter(world, "take"));
        due.is("put coin, behind it", StoryWorld.CONFUSED, Story.enter(world, "put coin"));
        Story.enter(world, "go n");
        due.is("go, behind a line with a direction", StoryWorld.CONFUSED, Story.enter(world, "go"));
    }
}
