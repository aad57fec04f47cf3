import java.util.ArrayList;
import java.util.List;

/** What an object answers, so that two can be compared: some 300 calls, the last ones of which change it. */
final class Shown {
    private final StillTown x;
    private final List<Long> all = new ArrayList<>();

    private Shown(StillTown x) {
        this.x = x;
    }

    static List<Long> of(StillTown x) {
        Shown shown = new Shown(x);
        shown.add(x.top(), x.bottom(), x.fault(0), x.fault(1));
        shown.town();
        shown.people();
        shown.trays();
        for (int i = 0; i < 8; i++) {
            shown.add(x.wayCell(i), x.saw(i));
        }
        shown.add(x.caught());
        shown.add(x.feed(0, 0, 0, 0, 0));
        for (int i = 0; i < 4; i++) {
            shown.add(x.back(), x.told(0), x.at(0, 60), x.at(1, 60));
        }
        return shown.all;
    }

    private void add(long... answers) {
        for (long answer : answers) {
            all.add(answer);
        }
    }

    private void town() {
        for (int i = 0; i < 10; i++) {
            add(x.told(i));
        }
        for (int cell = 0; cell < 48; cell += 5) {
            add(x.wall(cell), x.sways(cell));
        }
        add(x.cart(0, 0), x.cart(0, 60), x.cart(3, 7), x.lamp(0), x.lamp(7));
    }

    private void people() {
        for (int p = 0; p < 4; p++) {
            add(x.person(p, 0), x.person(p, 1), x.person(p, 2));
            for (int t = 0; t <= 60; t += 20) {
                add(x.at(p, t), x.looks(p, t), x.did(p, t), x.sight(p, t));
            }
            add(x.unseen(p, (p + 1) % 4, 60), x.weight(p, (p + 2) % 4, 2));
        }
    }

    private void trays() {
        for (int tray = 0; tray < 4; tray++) {
            for (int place = 0; place <= 60; place += place < 6 ? 1 : 27) {
                add(x.read(tray, place), x.status());
            }
        }
    }
}
