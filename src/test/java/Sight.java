import java.util.ArrayList;
import java.util.List;

/** All that can be seen of a house by some 350 calls; the last ones of them change it. */
final class Sight {
    private final SeatHouse house;
    private final boolean withPaper;
    private final List<String> seen = new ArrayList<>();

    private Sight(SeatHouse house, boolean withPaper) {
        this.house = house;
        this.withPaper = withPaper;
    }

    static List<String> of(SeatHouse house, boolean withPaper) {
        Sight sight = new Sight(house, withPaper);
        sight.look();
        return sight.seen;
    }

    private void note(String call, long answer) {
        seen.add(call + " " + answer);
    }

    private void look() {
        lookAtTold();
        for (int i = 0; withPaper && i <= Math.max(0, house.told(7)); i++) {
            note("paper " + i, house.paper(i));
        }
        for (int row = 0; row < 4; row++) {
            int i = 0;
            for (; house.get(row, i) != SeatHouse.NO; i++) {
                note("row " + row + " place " + i, house.get(row, i));
            }
            note("size of row " + row, i);
            note("set in row " + row, house.set(row, i, 1));
        }
        note("solve", house.solve());
        for (int i = 0; i < 24; i++) {
            note("cell " + i, house.cell(i / 6, i % 6));
        }
        note("the tape as votes", house.read(3));
        lookAtTold();
        note("undo", house.undo());
        lookAtTold();
    }

    private void lookAtTold() {
        for (int what = 0; what <= 35; what++) {
            if (withPaper || what != 7) {
                note("told " + what, house.told(what));
            }
        }
        for (int i = 0; i < 24; i++) {
            note("votes " + i, house.votes(i / 6, i % 6));
        }
    }
}
