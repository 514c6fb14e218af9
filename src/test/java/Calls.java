/** Every call of the face by its name, with the bounds of its arguments (two numbers each). */
final class Calls {
    static final String[] NAMES = {"state", "seeker", "set", "act", "mornings", "feed", "end", "text", "fault", "of",
        "who", "book", "goes", "led", "through", "meeting", "stands", "finds", "share", "part", "cut", "wish", "pairs",
        "eggs", "season", "height", "hollow", "third", "three", "sum", "pounds", "round", "rounds", "halves", "song",
        "spade", "spades", "game", "undo", "image", "look"};
    static final int[][] BOUNDS = {{-9, 9}, {0, 99, 0, 7, 0, 7}, {0, 2, 0, 9, 0, 99}, {0, 3, 0, 9}, {1, 60},
        {0, 9, 0, 9, 0, 9, 0, 9, 0, 9}, {0, 400}, {0, 3}, {0, 1}, {0, 7, 0, 7, 0, 39}, {0, 9, 0, 6}, {0, 149, 0, 3},
        {1, 60, 0, 3}, {0, 9, 1, 60, 0, 1}, {0, 1}, {0, 1}, {0, 2}, {1, 7, 0, 99}, {0, 2, 0, 1}, {1, 99},
        {1, 12, 0, 1}, {0, 1, 0, 3, 123, 3210}, {0, 1}, {0, 500, 1, 8, 0, 1}, {1, 55, 1, 55, 0, 5, 0, 1}, {0, 99},
        {0, 4}, {1, 60}, {0, 1}, {0, 99, 0, 15, 0, 15}, {0, 2}, {1, 20, 1, 20, 0, 399}, {1, 20, 1, 20, 0, 19, 0, 19},
        {1, 1000, 1, 1000}, {0, 30, 0, 1}, {0, 1023}, {0, 1}, {10, 155555}, {}, {0, 1}, {0, 12}};

    private Calls() {
    }

    static long call(GriefWood g, String name, int... a) {
        switch (name) {
            case "state": return g.state(a[0]);
            case "seeker": return g.seeker(a[0], a[1], a[2]);
            case "set": return g.set(a[0], a[1], a[2]) ? 1 : 0;
            case "act": return g.act(a[0], a[1]) ? 1 : 0;
            case "mornings": return g.mornings(a[0]);
            case "feed": return g.feed(a[0], a[1], a[2], a[3], a[4]);
            case "end": return g.end(a[0]) ? 1 : 0;
            case "text": return g.text(a[0]);
            case "fault": return g.fault(a[0]);
            case "of": return g.of(a[0], a[1], a[2]);
            case "who": return g.who(a[0], a[1]);
            case "book": return g.book(a[0], a[1]);
            case "goes": return g.goes(a[0], a[1]);
            case "led": return g.led(a[0], a[1], a[2]);
            case "through": return g.through(a[0]);
            case "meeting": return g.meeting(a[0]);
            case "stands": return g.stands(a[0]);
            case "finds": return g.finds(a[0], a[1]) ? 1 : 0;
            case "share": return g.share(a[0], a[1]);
            case "part": return g.part(a[0]);
            case "cut": return g.cut(a[0], a[1]);
            case "wish": return g.wish(a[0], a[1], a[2]) ? 1 : 0;
            case "pairs": return g.pairs(a[0]);
            case "eggs": return g.eggs(a[0], a[1], a[2]);
            case "season": return g.season(a[0], a[1], a[2], a[3]);
            case "height": return g.height(a[0]);
            case "hollow": return g.hollow(a[0]);
            case "third": return g.third(a[0]);
            case "three": return g.three(a[0]);
            case "sum": return g.sum(a[0], a[1], a[2]);
            case "pounds": return g.pounds(a[0]);
            case "round": return g.round(a[0], a[1], a[2]);
            case "rounds": return g.rounds(a[0], a[1], a[2], a[3]);
            case "halves": return g.halves(a[0], a[1]);
            case "song": return g.song(a[0], a[1]);
            case "spade": return g.spade(a[0]);
            case "spades": return g.spades(a[0]);
            case "game": return g.game(a[0]);
            case "undo": return g.undo() ? 1 : 0;
            case "image": return g.image(a[0] == 1) ? 1 : 0;
            case "look": return g.look(a[0]);
            default: throw new IllegalArgumentException(name);
        }
    }
}
