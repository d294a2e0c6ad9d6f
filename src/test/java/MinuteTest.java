/** The section "One minute", which stands behind promise 10. */
final class MinuteTest {
    private MinuteTest() {
    }

    static void run() {
        service();
        closingTime();
        servedInTheLastMinute();
        waiting();
        sitting();
        aching();
        walkingOut();
        fillingWindows();
        sameMinute();
    }

    private static void service() {
        WaitingRoomSimulation room = Rooms.call(Rooms.crowd(2), 2);
        room.openWindow(0, 99, 3);
        room.advance(1);
        Check.same("minute: the service time is the pace", Rooms.windows(room), "0:1/3 1:x 2:x");
        Check.same("minute: opening time falls without a customer", room.openingTimeLeft(0), 98);
        room.advance(1);
        Check.same("minute: the service time falls", room.serviceTimeLeft(0), 2);
        room.advance(1);
        Check.same("minute: not served yet", room.customerCount(), 2);
        Check.same("minute: served", room.advance(1), 1);
        Check.same("minute: the next one comes at once", Rooms.windows(room), "0:2/3 1:x 2:x");
        Check.same("minute: waited while the other was served", room.waitingTime(0), 4);
        room.advance(2);
        Check.same("minute: no waiting at a window", room.waitingTime(0), 4);
        Check.same("minute: no patience is lost at a window", room.patience(0), 26);
    }

    private static void closingTime() {
        WaitingRoomSimulation room = Rooms.call(Rooms.crowd(5), 3);
        room.openWindow(0, 2, 9);
        room.openWindow(1, 2, 9);
        room.openWindow(2, 3, 9);
        room.advance(1);
        Check.same("minute: at the windows", Rooms.windows(room), "0:1/9 1:2/9 2:3/9");
        room.advance(1);
        Check.same("minute: closed by time", Rooms.windows(room), "0:x 1:x 2:3/8");
        Check.same("minute: back in front, the later window foremost", Rooms.queue(room), "2! 1! 4 5");
        Check.same("minute: waits again in that very minute", room.waitingTime(0), 2);
        Check.same("minute: loses patience in that very minute", room.patience(0), 28);
        room.openWindow(0, 9, 4);
        room.advance(1);
        Check.same("minute: from one window to another", Rooms.windows(room), "0:3/4 1:x 2:x");
        Check.same("minute: a closed window is not filled", Rooms.queue(room), "2! 1! 4 5");
        WaitingRoomSimulation brief = Rooms.call(Rooms.crowd(1), 1);
        brief.openWindow(0, 1, 1);
        brief.advance(1);
        Check.same("minute: a window that closes in its first minute", Rooms.queue(brief), "1!");
    }

    private static void servedInTheLastMinute() {
        WaitingRoomSimulation room = Rooms.call(Rooms.crowd(1), 1);
        room.openWindow(0, 3, 2);
        room.advance(1);
        Check.same("minute: served before the window closes", room.advance(2), 1);
        Check.same("minute: nobody is left", room.customerCount(), 0);
        Check.same("minute: closed after it", room.openingTimeLeft(0), 0);
    }

    private static void waiting() {
        WaitingRoomSimulation room = Rooms.with(3, 10);
        room.advance(2);
        Check.same("minute: standing costs patience", room.patience(0), 1);
        Check.same("minute: no sigh yet", room.sighTotal(), 0);
        Check.same("minute: waiting time", room.waitingTime(1), 2);
        room.advance(1);
        Check.same("minute: a sigh at patience 0", room.sighs(0), 1);
        Check.same("minute: only of that customer", room.sighs(1), 0);
        room.advance(1);
        Check.same("minute: patience stays 0", room.patience(0), 0);
        Check.same("minute: sighs again", room.sighs(0), 2);
    }

    private static void sitting() {
        WaitingRoomSimulation room = Rooms.with(2);
        room.sit(0);
        room.advance(5);
        Check.same("minute: sitting costs no patience", room.patience(0), 2);
        Check.same("minute: sitting makes ache", room.ache(0), 5);
        Check.same("minute: sitting is waiting", room.waitingTime(0), 5);
        Check.same("minute: still sits", room.isSitting(0), true);
        room.advance(1);
        Check.same("minute: stands up with ache 6", room.isSitting(0), false);
        Check.same("minute: ache 6", room.ache(0), 6);
        Check.same("minute: nothing else in that minute", room.patience(0), 2);
        room.advance(1);
        Check.same("minute: patience after it", room.patience(0), 1);
        Check.same("minute: ache falls standing", room.ache(0), 5);
    }

    private static void aching() {
        WaitingRoomSimulation room = Rooms.with(20);
        room.sit(0);
        room.advance(6);
        room.sit(0);
        room.advance(1);
        Check.same("minute: ache is never above 6", room.ache(0), 6);
        Check.same("minute: stands up at once with ache 6", room.isSitting(0), false);
        Check.same("minute: that minute costs no patience", room.patience(0), 20);
        room.advance(10);
        Check.same("minute: ache is never below 0", room.ache(0), 0);
        WaitingRoomSimulation calm = Rooms.with(1);
        calm.advance(2);
        calm.sit(0);
        calm.advance(5);
        Check.same("minute: who sits does not sigh", calm.sighs(0), 2);
        Check.same("minute: nor walks out", calm.customerCount(), 1);
    }

    private static void walkingOut() {
        WaitingRoomSimulation room = Rooms.with(1, 30, 1, 30);
        room.advance(2);
        Check.same("minute: two sighs each", room.sighTotal(), 4);
        Check.same("minute: still there", room.customerCount(), 4);
        room.advance(1);
        Check.same("minute: walked out with the third sigh", Rooms.queue(room), "2 4");
        Check.same("minute: walked out", room.walkedOutTotal(), 2);
        Check.same("minute: sighs of those who left", room.sighTotal(), 6);
        Check.same("minute: everyone is processed once", room.waitingTime(0), 3);
        Check.same("minute: also the last one", room.waitingTime(1), 3);
        Check.same("minute: the last one's patience", room.patience(1), 27);
        Check.same("minute: indices", room.customerAtPosition(1), 1);
        WaitingRoomSimulation late = Rooms.call(Rooms.with(3), 1);
        late.advance(2);
        late.openWindow(0, 9, 9);
        late.advance(1);
        Check.same("minute: sighs, then goes to the window", Rooms.windows(late), "0:1/9 1:x 2:x");
        Check.same("minute: one sigh", late.sighs(0), 1);
        late.closeWindow(0);
        late.openWindow(0, 9, 9);
        late.advance(1);
        late.closeWindow(0);
        late.openWindow(0, 9, 9);
        late.advance(1);
        Check.same("minute: walks out before a window is filled", Rooms.windows(late), "0:- 1:x 2:x");
    }

    private static void fillingWindows() {
        WaitingRoomSimulation room = Rooms.crowd(4);
        room.swap(0, 3);
        Rooms.call(room, 2);
        room.sit(1);
        room.openWindow(1, 9, 5);
        room.openWindow(2, 9, 7);
        room.openWindow(0, 9, 3);
        room.advance(1);
        Check.same("minute: the called closest to the front first", Rooms.windows(room), "0:2/3 1:1/5 2:-");
        Check.same("minute: not called customers stay", Rooms.queue(room), "4 3");
        Check.same("minute: stands at the window", room.isSitting(1), false);
        Check.same("minute: the ache of sitting", room.ache(1), 1);
        Check.same("minute: a chair is free", room.sit(2), 1);
    }

    private static void sameMinute() {
        WaitingRoomSimulation room = Rooms.call(Rooms.crowd(4), 4);
        room.openWindow(0, 9, 1);
        room.openWindow(1, 9, 1);
        room.advance(1);
        Check.same("minute: two are served in one minute", room.advance(1), 2);
        Check.same("minute: the later window is served later", room.servedTicket(0), 2);
        Check.same("minute: the next two come", Rooms.windows(room), "0:3/1 1:4/1 2:x");
        Check.same("minute: indices follow", room.customerAtWindow(1), 1);
    }
}
