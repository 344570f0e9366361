/** What the tests write often: codes by their parts, and whole lines that are typed. */
final class Story {
    static final int GO = 0, TAKE = 1, DROP = 2, PUT = 3, OPEN = 4, CLOSE = 5;
    static final int FIXED = 1, BOX = 2, IS_OPEN = 4, LAMP = 8;
    static final int OPEN_BOX = BOX + IS_OPEN;
    static final int HELD = 6, NOWHERE = 7;
    static final int STOPS = 1024;
    static final int ALWAYS = 0;

    private Story() {
    }

    /** The place in thing t. */
    static int in(int t) {
        return 8 + t;
    }

    static int code(int kind, int a, int b) {
        return kind + 4 * a + 64 * b;
    }

    static int ifCounter(int k, int atLeast) {
        return code(1, k, atLeast);
    }

    static int ifPlace(int t, int place) {
        return code(2, t, place);
    }

    static int ifTrait(int t, int power) {
        return code(3, t, power);
    }

    static int say(int number) {
        return code(0, number % 16, number / 16);
    }

    static int move(int t, int place) {
        return code(1, t, place);
    }

    static int grow(int k, int by) {
        return code(2, k, by + 8);
    }

    static int carry(int room) {
        return code(3, room, 0);
    }

    /** The number of a word of one to four letters. */
    static int letters(String word) {
        int number = 0;
        for (int i = word.length() - 1; i >= 0; i--) {
            number = number * 27 + (word.charAt(i) - 'a' + 1);
        }
        return number;
    }

    static boolean type(StoryWorld world, String text) {
        boolean all = true;
        for (int i = 0; i < text.length(); i++) {
            all &= world.type(text.charAt(i));
        }
        return all;
    }

    static int enter(StoryWorld world, String text) {
        type(world, text);
        return world.enter();
    }

    /** Gives a word a meaning. */
    static int word(StoryWorld world, String word, int meaning) {
        return world.word(letters(word), meaning);
    }

    /** Adds a rule for a while that brings the player to a room, whatever the exits are. */
    static void bring(StoryWorld world, int room) {
        apply(world, carry(room));
    }

    /** Adds a rule for a while that lets an effect take place; there is no other rule for CLOSE 7 then. */
    static void apply(StoryWorld world, int effect) {
        world.rule(CLOSE, 7, ALWAYS, effect | STOPS);
        world.command(CLOSE, 7, 0);
        world.unrule();
    }

    /** Whether a condition holds, asked by a rule that is there for a while. */
    static boolean holds(StoryWorld world, int condition) {
        world.rule(GO, 3, condition, STOPS + carry(world.player()));
        boolean stopped = world.command(GO, 3, 0) == StoryWorld.STOPPED;
        world.unrule();
        return stopped;
    }
}
