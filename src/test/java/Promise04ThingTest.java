/** Promise 4: thing. */
public final class Promise04ThingTest {
    public static void main(String[] args) {
        Due due = new Due();
        everyTraitAndPlace(due);
        wrongOnes(due);
        insideItself(due);
        due.end();
    }

    private static void everyTraitAndPlace(Due due) {
        for (int t = 0; t < 8; t++) {
            StoryWorld world = new StoryWorld();
            for (int n = 0; n < 16; n++) {
                int traits = 15 - n;
                boolean itself = n == Story.in(t);
                int placeBefore = world.place(t);
                boolean answer = world.thing(t, traits, n);
                due.is("thing(" + t + ", " + traits + ", " + n + ")", itself ? 0 : 1, answer ? 1 : 0);
                due.is("place(" + t + ")", itself ? placeBefore : n, world.place(t));
                due.is("traits(" + t + ")", itself ? traits + 1 : traits, world.traits(t));
            }
        }
    }

    private static void wrongOnes(Due due) {
        StoryWorld world = new StoryWorld();
        world.thing(0, 5, 3);
        int[][] wrong = {
            {-1, 0, 0}, {8, 0, 0}, {0, -1, 0}, {0, 16, 0}, {0, 0, -1}, {0, 0, 16}, {0, 15, 8},
            {Integer.MIN_VALUE, 0, 0}, {Integer.MAX_VALUE, 0, 0}, {0, Integer.MIN_VALUE, 0},
            {0, Integer.MAX_VALUE, 0}, {0, 0, Integer.MIN_VALUE}, {0, 0, Integer.MAX_VALUE}};
        for (int[] w : wrong) {
            due.no("thing(" + w[0] + ", " + w[1] + ", " + w[2] + ")", world.thing(w[0], w[1], w[2]));
            due.is("place(0)", 3, world.place(0));
            due.is("traits(0)", 5, world.traits(0));
        }
    }

    /** A chain of all eight things: any of them may go where it is not inside itself. */
    private static void insideItself(Due due) {
        for (int t = 0; t < 8; t++) {
            for (int holder = 0; holder < 8; holder++) {
                StoryWorld world = new StoryWorld();
                chain(due, world);
                // Thing 7 is innermost: holders from t on are t itself or inside it.
                boolean refused = holder >= t;
                boolean answer = world.thing(t, 9, Story.in(holder));
                due.is("thing " + t + " into " + holder, refused ? 0 : 1, answer ? 1 : 0);
                int placeBefore = t == 0 ? 2 : Story.in(t - 1);
                due.is("place", refused ? placeBefore : Story.in(holder), world.place(t));
                due.is("traits", refused ? t : 9, world.traits(t));
            }
        }
    }

    private static void chain(Due due, StoryWorld world) {
        due.yes("thing 0 in room 2", world.thing(0, 0, 2));
        for (int t = 1; t < 8; t++) {
            due.yes("thing " + t + " in " + (t - 1), world.thing(t, t, Story.in(t - 1)));
        }
    }
}
